/-! CONTRACTS: weaker ends, other orders, more world; worlds in blocks -/
theorem MT.imp {l : Launch} {G : GG} {y : MethodName} {bytes : ByteArray} {maxL : Nat} {ret : Option FieldType} {k mc ms : Nat} {av : List Value} {ws : va_W} {R R' : Option Value → va_W → Prop} (h : MT l G y bytes maxL ret k mc ms av ws R) (f : ∀ v w, R v w → R' v w) : MT l G y bytes maxL ret k mc ms av ws R' := by
  intro sz p e hadm hc hck s m args below hfr hap hP hK
  obtain ⟨n, o, h1, h2, h3, ⟨⟨v, w, a, b, c⟩, d⟩, L, hL⟩ := h sz p e hadm hc hck s m args below hfr hap hP hK
  exact ⟨n, o, h1, h2, h3, ⟨⟨v, w, a, f v w b, c⟩, d⟩, L, hL⟩
theorem MT.perm {l : Launch} {G : GG} {y : MethodName} {bytes : ByteArray} {maxL : Nat} {ret : Option FieldType} {k mc ms : Nat} {av : List Value} {ws ws' : va_W} {R : Option Value → va_W → Prop} (q : ws'.Perm ws) (h : MT l G y bytes maxL ret k mc ms av ws R) : MT l G y bytes maxL ret k mc ms av ws' R := by
  intro sz
  have e1 : va_A ws sz = va_A ws' sz := funext fun a => propext ⟨pA_perm q.symm, pA_perm q⟩
  have h0 := h sz
  rw [e1] at h0
  intro p e hadm hc hck s m args below hfr hap hP hK
  exact h0 p e hadm hc hck s m args below hfr hap ⟨hP.1, hP.2.1, pP_perm q hP.2.2.1, hP.2.2.2.1, pD_perm q hP.2.2.2.2⟩ hK
theorem MT.frame {l : Launch} {G : GG} {y : MethodName} {bytes : ByteArray} {maxL : Nat} {ret : Option FieldType} {k mc ms : Nat} {av : List Value} {ws : va_W} {R : Option Value → va_W → Prop} (wr : va_W) (h : MT l G y bytes maxL ret k mc ms av ws R) : MT l G y bytes maxL ret k mc ms av (ws ++ wr) (fun v w => ∃ w1, R v w1 ∧ w = w1 ++ wr) := by
  intro sz p e hadm hc hck s m args below hfr hap hP hK
  have hsub : ∀ q, va_A ws sz q → va_A (ws ++ wr) sz q := by
    intro q hq
    rcases hq with ⟨i, e, hi⟩ | hq
    · obtain ⟨j, hj⟩ := List.getElem?_of_mem (List.mem_append_left wr (List.mem_of_getElem? hi))
      exact Or.inl ⟨j, e, hj⟩
    · exact Or.inr hq
  obtain ⟨n, o, h1, h2, h3, ⟨⟨v, w, a, b, c1, c2⟩, d1, d2⟩, L, hL, hL2⟩ := h sz p e hadm hc hck s m args below hfr hap ⟨hP.1, hP.2.1, (pP_app hP.2.2.1).1, hP.2.2.2.1, (pD_app hP.2.2.2.2).1⟩ hK
  have hsz := hP.2.1
  subst hsz
  have hD : va_D (va_A (ws ++ wr) s.heap.size) (ws ++ wr) := hP.2.2.2.2.self
  obtain ⟨g1, g2⟩ := pd_join hP.2.2.1 hD d2 hsub c1 c2
  exact ⟨n, o, h1, h2, h3, ⟨⟨v, w ++ wr, a, ⟨w, b, rfl⟩, g1, g2⟩, d1, fun q a1 a2 => d2 q a1 (fun z => a2 (hsub q z))⟩, L, hL, fun q hq => hsub _ (hL2 q hq)⟩
/-- a world out of blocks: cells, and parts that stay closed -/
def flt : List va_W → va_W
  | [] => []
  | [b] => b
  | b :: c :: bs => b ++ flt (c :: bs)
theorem flt_cons (b : va_W) : ∀ bs : List va_W, flt (b :: bs) = b ++ flt bs
  | [] => (List.append_nil b).symm
  | _ :: _ => rfl
theorem flt_flatten : ∀ bs : List va_W, flt bs = bs.flatten
  | [] => rfl
  | b :: bs => by rw [flt_cons, flt_flatten bs]; rfl
def bthD : Nat → List va_W → va_W
  | _, [] => []
  | 0, x :: _ => x
  | i + 1, _ :: l => bthD i l
def selB (bs : List va_W) : List Nat → List va_W
  | [] => []
  | i :: is => bthD i bs :: selB bs is
theorem selB_map (bs : List va_W) : ∀ is : List Nat, selB bs is = is.map (fun i => bthD i bs)
  | [] => rfl
  | i :: is => by rw [selB, selB_map bs is]; rfl
theorem bthD_get : ∀ (bs : List va_W) (i : Nat) (h : i < bs.length), bthD i bs = bs[i]
  | [], _, h => absurd h (Nat.not_lt_zero _)
  | _ :: _, 0, _ => rfl
  | _ :: l, i + 1, h => bthD_get l i (Nat.lt_of_succ_lt_succ h)
theorem rangeB_map (bs : List va_W) : (List.range bs.length).map (fun i => bthD i bs) = bs := by
  apply List.ext_getElem
  · simp
  · intro i h1 h2
    simp only [List.getElem_map, List.getElem_range]
    exact bthD_get bs i h2
theorem selB_perm {bs : List va_W} (is : List Nat) (n : Nat) (h1 : chk is n = true) (hn : bs.length = n) : bs.Perm (selB bs is) := by
  subst hn
  have hp := List.isPerm_iff.mp h1
  rw [selB_map]
  have h3 := hp.map (fun i => bthD i bs)
  rw [rangeB_map] at h3
  exact h3.symm
theorem pm_blk {ws l : va_W} (bs : List va_W) (is : List Nat) (n : Nat) (h1 : chk is n = true) (hn : bs.length = n) (hw : flt bs = ws) (h2 : flt (selB bs is) = l) : ws.Perm l := by
  rw [← hw, ← h2, flt_flatten, flt_flatten]
  exact (selB_perm is n h1 hn).flatten
theorem pm_blkc {ws wc wr : va_W} (bs : List va_W) (is js : List Nat) (n : Nat) (h1 : chk (is ++ js) n = true) (hn : bs.length = n) (hw : flt bs = ws) (h2 : flt (selB bs is) = wc) (h3 : flt (selB bs js) = wr) : ws.Perm (wc ++ wr) := by
  rw [← hw, ← h2, ← h3, flt_flatten, flt_flatten, flt_flatten, ← List.flatten_append]
  refine ((selB_perm (is ++ js) n h1 hn).trans ?_).flatten
  rw [selB_map, selB_map, selB_map, List.map_append]
theorem pm_blkj {wc wr l : va_W} (A B : List va_W) (is : List Nat) (n : Nat) (h1 : chk is n = true) (hn : (A ++ B).length = n) (hA : flt A = wc) (hB : flt B = wr) (h2 : flt (selB (A ++ B) is) = l) : (wc ++ wr).Perm l := by
  rw [← hA, ← hB, ← h2, flt_flatten, flt_flatten, flt_flatten, ← List.flatten_append]
  exact (selB_perm is n h1 hn).flatten
/-- a block in the midst is another one, in another order -/
theorem pm_out {a x y b ws l : va_W} (h : x.Perm y) (hw : a ++ (x ++ b) = ws) (hl : (a ++ (y ++ b)).Perm l) : ws.Perm l := by
  rw [← hw]
  exact (List.Perm.append_left a (h.append_right b)).trans hl
theorem pm_outL {a x y ws l : va_W} (h : x.Perm y) (hw : a ++ x = ws) (hl : (a ++ y).Perm l) : ws.Perm l := by
  rw [← hw]
  exact (List.Perm.append_left a h).trans hl
