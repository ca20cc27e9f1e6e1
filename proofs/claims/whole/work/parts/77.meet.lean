/-! MEETING A PLACE: what stays -/
section
variable {d : Nat} {h h' : mm_H} {Q : mm_Q} {e j a b r L n told : Nat} {R : zR} {E y : Int} {W C : Nat → Int} {P : Nat → Nat → Int} {l : List Int} {s : zS} {T : Nat → Prop}
theorem zRq.fr (H : zRq r L h h') (hL : L ≤ 8) : zFr (fun x => r ≤ x ∧ x < r + 10) h h' := ⟨H.1, H.2.1, H.2.2.1, H.2.2.2.1, fun a ha k => ⟨H.2.2.2.2.1 a k (by omega) (by omega), H.2.2.2.2.2 a k (by omega)⟩⟩
theorem zRv.fr (hR : zRv h r L R) (F : zFr T h h') (hT : ∀ x, r ≤ x → x < r + 10 → ¬ T x) : zRv h' r L R := ⟨hR.1.fr F hT, by rw [F.i (hT r (by omega) (by omega))]; exact hR.2.1, by rw [F.l (hT r (by omega) (by omega))]; exact hR.2.2⟩
theorem zRec.fr (hA : zRec h a C) (F : zFr T h h') (hT : ¬ T a) : zRec h' a C := ⟨by rw [F.2.2.1]; exact hA.1, fun k k1 k2 => by rw [F.i hT]; exact hA.2 k k1 k2⟩
theorem zCg.fr (hG : zCg h W n P) (F : zFr T h h') (hT : ∀ x, x < 21 → ¬ T x) (hn : n ≤ 8) : zCg h' W n P := ⟨fun k hk => by rw [F.i (hT 2 (by omega))]; exact hG.1 k hk, by rw [F.i (hT 3 (by omega))]; exact hG.2.1, fun p hp => ⟨by rw [F.2.2.1]; exact (hG.2.2.1 p hp).1, fun k k1 k2 => by rw [F.i (hT (5 + 2 * p) (by omega))]; exact (hG.2.2.1 p hp).2 k k1 k2⟩, fun p t hp ht => by rw [F.i (hT (6 + 2 * p) (by omega))]; exact hG.2.2.2 p t hp ht⟩
theorem zEs.fr (hE : zEs h R L) (F : zFr T h h') (hT : ∀ x, 42 ≤ x → x < 75 → ¬ T x) : zEs h' R L := fun j h1 h2 => ⟨(hE j h1 h2).1.fr F (hT _ (by omega) (by omega)) (hT _ (by omega) (by omega)), (hE j h1 h2).2.1.fr F (hT _ (by omega) (by omega)) (hT _ (by omega) (by omega)), (hE j h1 h2).2.2.fr F (hT _ (by omega) (by omega)) (hT _ (by omega) (by omega))⟩
theorem zNu.fr (hN : zNu h) (F : zFr T h h') (hT : ∀ x, 24 ≤ x → x < 42 → ¬ T x) : zNu h' := fun i hi => ⟨by rw [F.i (hT _ (by omega) (by omega))]; exact (hN i hi).1, by rw [F.i (hT _ (by omega) (by omega))]; exact (hN i hi).2⟩
theorem c82_7 (v3 v4 v5 v6 v7 v8 : Value) : mm_wp d 82 0 [.ref e, .int (nI 7), .int (zI E), v3, v4, v5, v6, v7, v8] [] h Q ↔ Q (.inl none) h := by
  have c1 : ¬ nI 7 < 0 := nI_pos (by omega)
  have c2 : ¬ nI 7 < (7 : Int32) := nI_nlt (a := 7) (b := 7) (by omega) (by omega)
  simp only [s82_0, s82_1, s82_4, s82_5, s82_7, s82_10, or_true, true_or, true_and, and_true, mm_o_some, mm_o_none, mm_bk_v, mm_bk_n, Nat.reduceAdd, if_neg c1, if_neg c2]
theorem c82y (hs : zSe h e) (he : 1 ≤ e) (hL : L < 8) (hEd : zEd h e L l) (hlen : l.length ≤ L + 1) (hE : zr E) (hl : ∀ i, i < l.length → zr (l.getD i 0)) (v3 v4 v5 v6 v7 v8 : Value) (H : ∀ h', zFr (fun x => e + 3 ≤ x ∧ x < e + 11) h h' → (∀ j, j ≤ L → ∀ l', zEd h e j l' → zEd h' e j l') → (L < 7 → zEd h' e (L + 1) (zIns E l)) → Q (.inl none) h') : mm_wp (d + 1) 82 0 [.ref e, .int (nI L), .int (zI E), v3, v4, v5, v6, v7, v8] [] h Q := by
  by_cases h7 : L = 7
  · subst h7
    rw [c82_7]
    exact H h zFr.refl (fun _ _ _ h => h) (fun h => by omega)
  · refine c82z hs he (by omega) hEd (by omega) hE hl v3 v4 v5 v6 v7 v8 (fun h' G F K => H h' (F.mono (fun a ha => by omega)) (fun j hj l' hl' => ⟨by rw [K j (by omega)]; exact hl'.1, hl'.2.1, fun i hi => ?_⟩) (fun _ => G))
    rw [F.i (by omega)]
    exact hl'.2.2 i hi
end
