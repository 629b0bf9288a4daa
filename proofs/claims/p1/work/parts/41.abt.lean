def ab_ho (d : Nat) (rows : List pv_R) (Q : Option Value → pv_H → Prop) (g : Nat) (o : ab_O) : Prop := match o with
  | (some k, s) => ∀ lo st h, ab_gs g s lo st h → wG d rows k lo st h Q
  | (none, s) => ∀ (v : Option Value) (h : pv_H), (s.1.1 ≤ g ∧ g ≤ s.1.2) → ab_all2 (ab_gv g) s.2.2.1 v.toList → ab_all2 (ab_gc g) s.2.2.2 h → Q v h
theorem ab_hsl_ok {g : Nat} {lo : pv_L} {st : List Value} {h : pv_H} : ∀ {ss : List ab_S} {s t : ab_S}, ab_hsl ss = some t → s ∈ ss → ab_gs g s lo st h → ab_gs g t lo st h
  | [], _, _, e, _, _ => by cases e
  | [s0], s, t, e, hm, hs => by
    cases e
    rw [List.mem_singleton] at hm
    rw [← hm]
    exact hs
  | s0 :: s1 :: ss, s, t, e, hm, hs => by
    unfold ab_hsl at e
    simp only [] at e
    split at e
    · next t' ht =>
      rcases List.mem_cons.mp hm with q | q
      · exact (ab_hs_ok e).1 (q ▸ hs)
      · exact (ab_hs_ok e).2 (ab_hsl_ok ht q hs)
    · cases e
theorem ab_spl_ok {J : Nat} : ∀ {os : List ab_O} {o : ab_O}, o ∈ os → (∃ s, o = (some J, s) ∧ s ∈ (ab_spl J os).1) ∨ o ∈ (ab_spl J os).2
  | [], _, h => by cases h
  | (some k, s) :: os, o, h => by
    unfold ab_spl
    simp only []
    cases hk : (k == J) with
    | true =>
      have hk' : k = J := by simpa using hk
      subst hk'
      rcases List.mem_cons.mp h with q | q
      · exact Or.inl ⟨s, q, List.mem_cons_self⟩
      · rcases ab_spl_ok (J := k) q with ⟨s', e1, e2⟩ | e
        · exact Or.inl ⟨s', e1, List.mem_cons_of_mem _ e2⟩
        · exact Or.inr e
    | false =>
      rcases List.mem_cons.mp h with q | q
      · exact Or.inr (q ▸ List.mem_cons_self)
      · rcases ab_spl_ok (J := J) q with ⟨s', e1, e2⟩ | e
        · exact Or.inl ⟨s', e1, e2⟩
        · exact Or.inr (List.mem_cons_of_mem _ e)
  | (none, s) :: os, o, h => by
    unfold ab_spl
    simp only []
    rcases List.mem_cons.mp h with q | q
    · exact Or.inr (q ▸ List.mem_cons_self)
    · rcases ab_spl_ok (J := J) q with ⟨s', e1, e2⟩ | e
      · exact Or.inl ⟨s', e1, e2⟩
      · exact Or.inr (List.mem_cons_of_mem _ e)
theorem ab_many_ok {go : Nat → ab_S → Option (List ab_O)} : ∀ {L : List (Nat × ab_S)} {os : List ab_O} {q : Nat × ab_S}, ab_many go L = some os → q ∈ L → ∃ a, go q.1 q.2 = some a ∧ ∀ o ∈ a, o ∈ os
  | [], _, _, _, h => by cases h
  | p :: L, os, q, e, h => by
    unfold ab_many at e
    split at e
    · next a b e1 e2 =>
      cases e
      rcases List.mem_cons.mp h with r | r
      · exact ⟨a, r ▸ e1, fun o ho => List.mem_append_left _ ho⟩
      · obtain ⟨a', h1, h2⟩ := ab_many_ok e2 r
        exact ⟨a', h1, fun o ho => List.mem_append_right _ (h2 o ho)⟩
    · cases e
/-- what a call over bounds must keep -/
def ab_cl (d : Nat) (call : ab_K) : Prop := ∀ j as G h v G' h', call j as G h = some (v, G', h') → ∀ g as' hh, (G.1 ≤ g ∧ g ≤ G.2) → ab_all2 (ab_gv g) as as' → ab_all2 (ab_gc g) h hh → wR d j as' hh (fun w h1 => ab_all2 (ab_gv g) v w.toList ∧ (G'.1 ≤ g ∧ g ≤ G'.2) ∧ ab_all2 (ab_gc g) h' h1)
theorem ab_go_ok {d : Nat} {call : ab_K} {rows : List pv_R} {jn : List (Nat × Nat)} {Q : Option Value → pv_H → Prop} (hcall : ab_cl d call) : ∀ (f : Nat) (stops : List Nat) (k : Nat) (s : ab_S) (os : List ab_O), ab_go call rows jn f stops k s = some os → ∀ (g : Nat) (lo : pv_L) (st : List Value) (h : pv_H), ab_gs g s lo st h → (∀ o ∈ os, ab_ho d rows Q g o) → wG d rows k lo st h Q := by
  intro f
  induction f with
  | zero => intro stops k s os e; cases e
  | succ f ih =>
    have nx : ∀ (stops : List Nat) (k : Nat) (s : ab_S) (os : List ab_O), ab_nx (fun stops k s => ab_go call rows jn f stops k s) stops k s = some os → ∀ (g : Nat) (lo : pv_L) (st : List Value) (h : pv_H), ab_gs g s lo st h → (∀ o ∈ os, ab_ho d rows Q g o) → wG d rows k lo st h Q := by
      intro stops k s os e g lo st h hs hO
      unfold ab_nx at e
      cases hc : stops.elem k with
      | true =>
        rw [hc] at e
        cases e
        exact hO _ (List.mem_singleton_self _) lo st h hs
      | false =>
        rw [hc, cond_false] at e
        exact ih stops k s os e g lo st h hs hO
    intro stops k s os e g lo st h hs hO
    unfold ab_go at e
    split at e
    · cases e
    · next r hr =>
      cases hret : ab_ret r.2.1 r.2.2.2.1 s.1 s.2.2.1 with
      | true =>
        rw [hret] at e
        cases e
        obtain ⟨v, h1, h2⟩ := ab_ret_ok hret hs.1 hs.2.2.1
        refine wG_ret hr h1 ?_
        refine hO _ (List.mem_singleton_self _) v h hs.1 ?_ hs.2.2.2
        rw [h2]
        exact hs.2.2.1
      | false =>
        rw [hret, cond_false] at e
        split at e
        · next j as rest hinv =>
          obtain ⟨as', rest', i1, i2, i3, i4⟩ := ab_inv_ok hinv hs.2.2.1 hs.2.2.2
          split at e
          · next v G' h' hcl =>
            refine wG_call hr i2 i1 (wR_mono ?_ (hcall j as s.1 s.2.2.2 v G' h' hcl g as' h hs.1 i3 hs.2.2.2))
            intro w h1 hw
            exact nx stops (k + 1) _ os e g lo _ h1 ⟨hw.2.1, hs.2.1, ab2_app hw.1 i4, hw.2.2⟩ hO
          · cases e
        · next hinv =>
          split at e
          · cases e
          · next L hx =>
            obtain ⟨k', lo', st', h', s', x1, x2, x3⟩ := ab_x_ok hs L hx
            have hn := ab_x_nri (st' := st) (h' := h) hx
            refine wG_step hr hn.1 hn.2 x1 ?_
            split at e
            · next q =>
              rw [List.mem_singleton] at x2
              subst x2
              exact nx stops _ _ os e g lo' st' h' x3 hO
            · split at e
              · obtain ⟨a, a1, a2⟩ := ab_many_ok e x2
                exact nx stops _ _ a a1 g lo' st' h' x3 (fun o ho => hO o (a2 o ho))
              · next J hJ =>
                split at e
                · cases e
                · next os1 hm =>
                  obtain ⟨a, a1, a2⟩ := ab_many_ok hm x2
                  refine nx (J :: stops) _ _ a a1 g lo' st' h' x3 (fun o ho => ?_)
                  split at e
                  · next hh =>
                    split at e
                    · next hnil =>
                      cases e
                      rcases ab_spl_ok (J := J) (a2 o ho) with ⟨s9, e1, e2⟩ | e1
                      · rw [hnil] at e2; cases e2
                      · exact hO o e1
                    · cases e
                  · next s2 hh =>
                    split at e
                    · next o2 h2 =>
                      cases e
                      rcases ab_spl_ok (J := J) (a2 o ho) with ⟨s9, e1, e2⟩ | e1
                      · rw [e1]
                        intro lo2 st2 hp2 hs2
                        exact nx stops J s2 o2 h2 g lo2 st2 hp2 (ab_hsl_ok hh e2 hs2) (fun o ho => hO o (List.mem_append_right _ ho))
                      · exact hO o (List.mem_append_left _ e1)
                    · cases e
