/-! SEND: an evening set out later is the same evening later -/
theorem pu_join_S (K : pu_K) (S : Nat) : ∀ (xs : List Nat) (p : Nat), pu_join (pu_upK K 8 5 S) p xs = pu_join K p xs := by
  intro xs
  induction xs with
  | nil => intro p; rfl
  | cons x xs ih =>
    intro p
    unfold pu_join
    rw [ih]
    rfl
theorem pu_grp_S (K : pu_K) (S x : Nat) (xs : List Nat) : pu_grp (pu_upK K 8 5 S) x xs = pu_grp K x xs := by
  unfold pu_grp
  rw [pu_join_S]
  rfl
theorem pu_f2_S (K : pu_K) (S : Nat) : pu_upK K 8 5 S 2 = K 2 := by
  funext j
  unfold pu_upK
  exact if_neg (by omega)
theorem pu_load_S (K : pu_K) (S : Nat) (xs : List Nat) : pu_load (pu_upK K 8 5 S) xs = pu_load K xs := by
  unfold pu_load
  rw [pu_f2_S]
theorem pu_secs_S (K : pu_K) (S load : Nat) : pu_secs (pu_upK K 8 5 S) load = pu_secs K load := rfl
theorem pu_ev_S {K : pu_K} {S c d : Nat} : ∀ (f : Nat) (l : List Nat) (t n : Nat) (U G U' G' : Nat → Int32), U' d = U d + nI c → (pu_ev (pu_upK K 8 5 S) f l (t + c) n U' G').2.2.1 d = (pu_ev K f l t n U G).2.2.1 d + nI c := by
  intro f
  induction f with
  | zero => intro l t n U G U' G' h; cases l <;> exact h
  | succ f ih =>
    intro l t n U G U' G' h
    cases l with
    | nil => exact h
    | cons x xs =>
      unfold pu_ev
      rw [pu_grp_S, pu_load_S, pu_secs_S, pu_secs_S, show pu_upK K 8 5 S 8 1 = K 8 1 from rfl, show t + c + pu_secs K (K 8 1 + pu_load K (x :: xs.take (pu_grp K x xs))) + pu_secs K (K 8 1) = t + pu_secs K (K 8 1 + pu_load K (x :: xs.take (pu_grp K x xs))) + pu_secs K (K 8 1) + c by omega]
      refine ih _ _ _ _ _ _ _ ?_
      by_cases q : d ∈ x :: xs.take (pu_grp K x xs)
      · rw [if_pos q, if_pos q, nI_add]
        congr 1
        omega
      · rw [if_neg q, if_neg q]
        exact h
/-- UP, set out at S -/
theorem pu_u_S {K : pu_K} {S d : Nat} (hK : pu_ok K) (hS : S ≤ 400) (ho : pu_ord K (K 6)) (hd : d < K 0 0) : pu_u (pu_upK K 8 5 S) (pu_line (pu_upK K 8 5 S) (pu_upK K 8 5 S 6) 7) 7 d + K 8 5 = pu_u K (pu_line K (K 6) 7) 7 d + S := by
  have hd6 := hK.1
  have h85 := hK.2.2.2.2.2.2.2.2.2.2
  have hKS : pu_ok (pu_upK K 8 5 S) := pu_ok_box hK _ _ (by omega) (by omega) (by omega) (by omega) (by omega) (by omega)
  have a1 := (pu_evU (s := 7) hK ho hd (by omega) (fun _ => nI (K 8 5)) (fun _ => 0)).1
  have a2 := (pu_evU (K := pu_upK K 8 5 S) (s := 7) hKS (show pu_ord (pu_upK K 8 5 S) (pu_upK K 8 5 S 6) from ho) hd (by omega) (fun _ => nI S) (fun _ => 0)).1
  have b1 := pu_u_le (s := 7) hK ho hd
  have b2 := pu_u_le (K := pu_upK K 8 5 S) (s := 7) hKS (show pu_ord (pu_upK K 8 5 S) (pu_upK K 8 5 S 6) from ho) hd
  have e2 := pu_ev_S (K := K) (S := S) (c := S) (d := d) 6 (pu_line K (K 6) 7) 0 0 (fun _ => 0) (fun _ => 0) (fun _ => nI S) (fun _ => 0) (by rw [Int32.zero_add])
  have e1 := pu_ev_S (K := K) (S := K 8 5) (c := K 8 5) (d := d) 6 (pu_line K (K 6) 7) 0 0 (fun _ => 0) (fun _ => 0) (fun _ => nI (K 8 5)) (fun _ => 0) (by rw [Int32.zero_add])
  have hKK : pu_upK K 8 5 (K 8 5) = K := by
    funext f j
    unfold pu_upK
    by_cases c : f = 8 ∧ j = 5
    · rw [if_pos c, c.1, c.2]
    · rw [if_neg c]
  rw [hKK, Nat.zero_add, a1] at e1
  rw [Nat.zero_add] at e2
  have a2' : (pu_ev (pu_upK K 8 5 S) 6 (pu_line K (K 6) 7) S 0 (fun _ => nI S) (fun _ => 0)).2.2.1 d = nI (pu_u (pu_upK K 8 5 S) (pu_line (pu_upK K 8 5 S) (pu_upK K 8 5 S 6) 7) 7 d) := a2
  rw [a2'] at e2
  have e : nI (pu_u (pu_upK K 8 5 S) (pu_line (pu_upK K 8 5 S) (pu_upK K 8 5 S 6) 7) 7 d + K 8 5) = nI (pu_u K (pu_line K (K 6) 7) 7 d + S) := by
    rw [← nI_add, ← nI_add, e1, e2, Int32.add_assoc, Int32.add_assoc, Int32.add_comm (nI S)]
  exact (nI_eq (by omega) (by omega)).mp e
