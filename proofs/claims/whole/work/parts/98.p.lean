/-! the law's pieces: a chain -/
theorem q_Sput {k : Nat} {w v : z_Wd} (h : q_S k w v) (hl : v 38 2 + 1 ≤ v 37 2) {c s : Int} : P_M_put w c 0 ∧ P_W_add v s 0 ∧ q_S k (F_M_put w c 0) (F_W_add v s 0) ∧ q_fr w v (F_M_put w c 0) (F_W_add v s 0) ∧ F_M_put w c 0 4 (w 0 14).toNat = w 4 (w 0 14).toNat + 1 ∧ (∀ i : Nat, F_M_put w c 0 2 (520 * (w 0 14).toNat + i) = if (i : Int) = w 4 (w 0 14).toNat then c else w 2 (520 * (w 0 14).toNat + i)) ∧ (∀ i : Nat, F_M_put w c 0 3 (520 * (w 0 14).toNat + i) = if (i : Int) = w 4 (w 0 14).toNat then 0 else w 3 (520 * (w 0 14).toNat + i)) ∧ F_W_add v s 0 38 2 = v 38 2 + 1 ∧ (∀ i : Nat, F_W_add v s 0 39 i = if (i : Int) = v 38 2 then s * 10000 + 0 else v 39 i) ∧ F_W_add v s 0 37 = v 37 := by
  obtain ⟨ht, hq, ha, hp⟩ := q_Sat h
  obtain ⟨h1, h2, h3, h4, h5, h6, h7, h8⟩ := h
  obtain ⟨u1, u2, u3, u4, u5, u6⟩ := q_put (w := w) (v := v) (c := c) (x := 0) h6 (by omega)
  obtain ⟨a1, a2, a3, a4⟩ := q_add (w := w) (v := v) (s := s) (x := 0) (by omega)
  have f := a1.2.1
  have v28 : F_W_add v s 0 28 1 = v 28 1 := fr_f f 28 1 rfl rfl
  have v29 : F_W_add v s 0 29 = v 29 := fr_c f 29 rfl rfl
  refine ⟨u1, ⟨by omega, fun _ => trivial, fun _ => by omega⟩, ⟨t_tac h1 (by rw [u6]) (fr_c u2.1 1 rfl rfl) v28 v29, by rw [u6]; exact h2, by rw [u6, v28]; exact h3, by rw [u6, a4, x_bb v28 v29 (by omega)]; exact h4, by rw [u6]; exact h5, by rw [u6]; exact h6, ?_, by rw [a2, a4]; exact hl⟩, ⟨u2.1, f, u2.2.2⟩, u3, u4, u5, a2, a3, a4⟩
  rw [u6, u3, a2]
  omega
def q_cM (fM : z_Wd → z_Wd) (cd : Int → Int) (wd : z_Wd) : Nat → z_Wd → z_Wd
  | 0, _ => wd
  | m + 1, w => if w 0 4 = -1 then (if cd (F_M_look w).1 = -1 then (F_M_look w).2 else q_cM fM cd wd m (F_M_put (fM (z_up (F_M_look w).2 0 3 ((F_M_look w).2 0 3 + 1))) (cd (F_M_look w).1) 0)) else w
def q_pM (fM : z_Wd → z_Wd) (pM : z_Wd → Prop) (cd : Int → Int) : Nat → z_Wd → Prop
  | 0, _ => False
  | m + 1, w => (-2147483648 ≤ w 0 4 ∧ w 0 4 < 2147483648) ∧ (w 0 4 = -1 → P_M_look w ∧ (-2147483648 ≤ (F_M_look w).1 ∧ (F_M_look w).1 < 2147483648) ∧ (¬ cd (F_M_look w).1 = -1 → pM (z_up (F_M_look w).2 0 3 ((F_M_look w).2 0 3 + 1)) ∧ P_M_put (fM (z_up (F_M_look w).2 0 3 ((F_M_look w).2 0 3 + 1))) (cd (F_M_look w).1) 0 ∧ q_pM fM pM cd m (F_M_put (fM (z_up (F_M_look w).2 0 3 ((F_M_look w).2 0 3 + 1))) (cd (F_M_look w).1) 0)))
def q_cD (fD : z_Wd → Int × z_Wd) (cd : Int → Int) : Nat → z_Wd → Int × z_Wd
  | 0, v => (1, v)
  | m + 1, v => if cd (F_T_at v (v 37 2)) = -1 then (1, v) else if (fD (F_LR_step v)).1 = 0 then (0, (fD (F_LR_step v)).2) else q_cD fD cd m (F_W_add (fD (F_LR_step v)).2 (F_T_at v (v 37 2)) 0)
def q_pD (fD : z_Wd → Int × z_Wd) (pD : z_Wd → Prop) (cd : Int → Int) : Nat → z_Wd → Prop
  | 0, _ => True
  | m + 1, v => P_T_at v (v 37 2) ∧ (-2147483648 ≤ F_T_at v (v 37 2) ∧ F_T_at v (v 37 2) < 2147483648) ∧ (¬ cd (F_T_at v (v 37 2)) = -1 → P_LR_step v ∧ pD (F_LR_step v) ∧ (-2147483648 ≤ (fD (F_LR_step v)).1 ∧ (fD (F_LR_step v)).1 < 2147483648) ∧ (¬ (fD (F_LR_step v)).1 = 0 → P_W_add (fD (F_LR_step v)).2 (F_T_at v (v 37 2)) 0 ∧ q_pD fD pD cd m (F_W_add (fD (F_LR_step v)).2 (F_T_at v (v 37 2)) 0)))
/-- what the signs of a chain mean -/
def q_cd (b : Bool) (cd : Int → Int) : Prop := cd (-1) = -1 ∧ cd 0 = -1 ∧ ∀ x, ¬ cd x = -1 → l_sg (cd x) = x ∧ l_va (cd x) 0 ∧ ∀ s : List Bool, l_ty (cd x) (b :: b :: s) = some (b :: s)
theorem q_cdm {b : Bool} {cd : Int → Int} (h : q_cd b cd) (x : Int) : cd (t_mc x) = cd x := by
  unfold t_mc
  by_cases c : x = 0
  · rw [if_pos c, c, h.1, h.2.1]
  · rw [if_neg c]
set_option maxHeartbeats 1000000 in
theorem q_chain {b : Bool} {nd nd1 : Nat} {B : Int} {k : Nat} {fM : z_Wd → z_Wd} {pM : z_Wd → Prop} {fD : z_Wd → Int × z_Wd} {pD : z_Wd → Prop} {cd : Int → Int} {wd : z_Wd} (hR : q_R b nd1 B k fM pM fD pD) (hc : q_cd b cd) (hn : nd1 + 1 ≤ nd) (hB : B < 519) {w0 v0 : z_Wd} (hL : 0 ≤ w0 0 14 ∧ w0 0 14 < 5) (ha : 0 ≤ w0 4 (w0 0 14).toNat) (hk : 0 ≤ v0 38 2) : ∀ (mD mM : Nat) (w v : z_Wd) (n : Nat), q_G b nd w0 v0 w v n → q_S k w v → 241 ≤ (mD : Int) + v 37 2 → mD < mM → q_pM fM pM cd mM w ∧ q_pD fD pD cd mD v ∧ q_O b nd (B + 1) k w0 v0 (q_cM fM cd wd mM w) (q_cD fD cd mD v)
  | 0, _, w, v, n, hG, hS, hm, hmm => by
    have hq := (q_Sat hS).2.1
    omega
  | mD + 1, 0, w, v, n, hG, hS, hm, hmm => by omega
  | mD + 1, mM + 1, w, v, n, hG, hS, hm, hmm => by
    obtain ⟨ht, hq, hat, hp⟩ := q_Sat hS
    obtain ⟨l1, l2⟩ := q_Sl hS
    have s4 : w 0 4 = -1 := hS.2.1
    have hx := t_mcr hat.1
    simp only [q_pM, q_pD, q_cM, q_cD]
    rw [l2]
    dsimp only
    rw [q_cdm hc, if_pos s4, z_up_at, z_twice]
    by_cases cx : cd (F_T_at v (v 37 2)) = -1
    · rw [if_pos cx, if_pos cx]
      obtain ⟨z1, z2⟩ := q_S0 hS
      exact ⟨⟨by omega, fun _ => ⟨l1, by omega, fun z => absurd cx z⟩⟩, ⟨hp, by omega, fun z => absurd cx z⟩, Or.inl ⟨rfl, ⟨n, q_Gq hG z2⟩, z1⟩⟩
    · rw [if_neg cx, if_neg cx]
      have x0 : F_T_at v (v 37 2) ≠ 0 := fun z => cx (by rw [z]; exact hc.2.1)
      obtain ⟨g1, g2, g3⟩ := hc.2.2 _ cx
      obtain ⟨n1, n2, n3, n4⟩ := q_Sn (k' := k) (w1 := z_up w 0 3 (v 37 2 + 1)) hS x0 (fr_uf rfl fr_rf) z_up_at (by rw [z_up_ne (by decide)]; exact hS.2.2.2.2.1)
      obtain ⟨r1, r2, r3⟩ := hR _ _ n2
      have L1 : (z_up w 0 3 (v 37 2 + 1)) 0 14 = w 0 14 := z_up_ne (by decide)
      have Lw : w 0 14 = w0 0 14 := fr_f hG.1.1 0 14 rfl rfl
      generalize z_up w 0 3 (v 37 2 + 1) = w1 at *
      generalize F_LR_step v = v1 at *
      generalize fM w1 = w3 at *
      generalize fD v1 = r at *
      generalize F_T_at v (v 37 2) = x at *
      rcases r3 with ⟨o1, ⟨n9, o2⟩, o3⟩ | ⟨o1, o2⟩
      · -- well read: both put
        have ro : ¬ r.1 = 0 := by omega
        rw [if_neg ro]
        obtain ⟨f3, p3, c4, c38, c37, -⟩ := id o2
        have v138 : v1 38 = v 38 := fr_c n3.2.1 38 rfl rfl
        have h8 := hS.2.2.2.2.2.2.2
        rw [v138] at c38
        obtain ⟨u1, u2, u3, u4, u5, u6, u7, u8, u9, u10⟩ := q_Sput (c := cd x) (s := x) o3 (by omega)
        have L3 : w3 0 14 = w0 0 14 := by rw [fr_f f3.1 0 14 rfl rfl, L1, Lw]
        rw [L3] at u5 u6 u7
        have G := q_two (c := cd x) (nd := nd) hL ha hk hG (q_mvf n3) (fr_c n3.1 4 rfl rfl) (fr_c n3.1 2 rfl rfl) (fr_c n3.1 3 rfl rfl) (fr_c n3.2.1 39 rfl rfl) (by rw [v138]) n4 o2 u4 u5 u6 u7 u8 (by rw [g1]; exact u9) (by rw [u10]) g3 g2 ⟨Nat.le_refl _, hn⟩
        have u11 : F_W_add r.2 x 0 37 2 = r.2 37 2 := by rw [u10]
        obtain ⟨i1, i2, i3⟩ := q_chain (wd := wd) hR hc hn hB hL ha hk mD mM _ _ _ G u3 (by rw [u11]; omega) (by omega)
        exact ⟨⟨by omega, fun _ => ⟨l1, by omega, fun _ => ⟨r1, u1, i1⟩⟩⟩, ⟨hp, by omega, fun _ => ⟨n1, r2, by omega, fun _ => ⟨u2, i2⟩⟩⟩, i3⟩
      · -- a fault: the reference puts and ends
        rw [if_pos o1]
        have oF := q_Ff (q_frT hG.1 (q_mvf n3)) o2
        obtain ⟨u1, u2, u3⟩ := q_Fput (c := cd x) (x := 0) hL oF (by omega)
        have w4 : F_M_put w3 (cd x) 0 0 4 = r.2 37 2 := by rw [u3]; exact o2.2.1
        have rr := o2.2.2.1
        obtain ⟨m9, em⟩ : ∃ m9, mM = m9 + 1 := ⟨mM - 1, by omega⟩
        subst em
        have ne : ¬ F_M_put w3 (cd x) 0 0 4 = -1 := by omega
        have e1 : q_cM fM cd wd (m9 + 1) (F_M_put w3 (cd x) 0) = F_M_put w3 (cd x) 0 := by
          simp only [q_cM]
          rw [if_neg ne]
        have e2 : q_pM fM pM cd (m9 + 1) (F_M_put w3 (cd x) 0) := by
          simp only [q_pM]
          exact ⟨by omega, fun z => absurd z ne⟩
        rw [e1]
        exact ⟨⟨by omega, fun _ => ⟨l1, by omega, fun _ => ⟨r1, u1, e2⟩⟩⟩, ⟨hp, by omega, fun _ => ⟨n1, r2, by omega, fun z => absurd o1 z⟩⟩, Or.inr ⟨rfl, u2⟩⟩
/-- the class's loop is the chain -/
theorem q_zf {E : Nat → Bool} {A : Nat → z_Wd} {R : Nat → Int × z_Wd} {C : Nat → z_Wd → Int × z_Wd} (h0 : ∀ u, C 0 u = (1, u)) (hE : ∀ i m, E i = true → C (m + 1) (A i) = R i) (hN : ∀ i m, ¬ E i = true → C (m + 1) (A i) = C m (A (i + 1))) : ∀ (m i : Nat), zfind E i = -1 → C m (A i) = if zfind E (i + m) = -1 then (1, A (i + m)) else R (zfind E (i + m)).toNat
  | 0, i, hi => by
    rw [Nat.add_zero, if_pos hi, h0]
  | m + 1, i, hi => by
    by_cases c : E i = true
    · rw [zfind_hit hi c (i + (m + 1)) (by omega), if_neg (by omega), Int.toNat_natCast]
      exact hE i m c
    · rw [hN i m c, q_zf h0 hE hN m (i + 1) (zfind_miss hi c), show i + 1 + m = i + (m + 1) by omega]
theorem q_zp {E : Nat → Bool} {A : Nat → z_Wd} {S : Nat → Prop} {P : Nat → z_Wd → Prop} (hS : ∀ i m, P (m + 1) (A i) → S i ∧ (¬ E i = true → P m (A (i + 1)))) {N : Nat} (h : P N (A 0)) : ∀ i, i < N → zfind E i = -1 → S i := by
  have k : ∀ i, i ≤ N → zfind E i = -1 → P (N - i) (A i) := by
    intro i
    induction i with
    | zero => exact fun _ _ => h
    | succ i ih =>
      intro hi hz
      have z0 : zfind E i = -1 := by
        simp only [zfind] at hz
        by_cases c : zfind E i = -1
        · exact c
        · rw [if_neg c] at hz
          exact hz
      have q := ih (by omega) z0
      rw [show N - i = (N - (i + 1)) + 1 by omega] at q
      refine (hS i _ q).2 (fun c => ?_)
      have := zfind_hit z0 c (i + 1) (by omega)
      omega
  intro i hi hz
  have q := k i (by omega) hz
  rw [show N - i = (N - i - 1) + 1 by omega] at q
  exact (hS i _ q).1
