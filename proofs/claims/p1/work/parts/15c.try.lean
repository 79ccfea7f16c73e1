noncomputable def yrun0 (E : yE) : yR := y_run yP E (nat_lit 12) (nat_lit 256) [y_v (.retAddr (nat_lit 0))] true (nat_lit 0) (y_rep y_hd y_no) (fun o f cnt h => some (.inr (.inl (o, h, (nat_lit 0, nat_lit 0, f, cnt))))) (fun _ _ _ _ => none)
def yis1 (r : yR) : Bool := match r with | some (.inr (.inl (some (.inl n), _, _))) => Nat.beq n (nat_lit 1) | _ => false
theorem ytry0 : yis1 (yrun0 ([y_i (nat_lit 41), y_z, y_z, y_z], [], [])) = true := by decide +kernel
