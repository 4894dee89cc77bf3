/-! Worlds put back run by run, with the new world written out. -/
theorem zput_app : ∀ (is1 is2 : List Nat) (q1 q2 ws : va_W), is1.length = q1.length → zput ws (is1 ++ is2) (q1 ++ q2) = zput (zput ws is1 q1) is2 q2 := by
  intro is1
  induction is1 with
  | nil => intro is2 q1 q2 ws h; cases q1 with
    | nil => cases is2 <;> cases q2 <;> rfl
    | cons q q1 => simp at h
  | cons i is1 ih =>
    intro is2 q1 q2 ws h
    cases q1 with
    | nil => simp at h
    | cons q q1 => exact ih is2 q1 q2 (ws.set i q) (by simpa using h)
theorem zput_run : ∀ (k : Nat) (pre wc post q : va_W), wc.length = k → q.length = k → zput (pre ++ (wc ++ post)) (List.range' pre.length k) q = pre ++ (q ++ post) := by
  intro k
  induction k with
  | zero =>
    intro pre wc post q h1 h2
    rw [List.length_eq_zero_iff] at h1 h2
    subst h1; subst h2
    rfl
  | succ k ih =>
    intro pre wc post q h1 h2
    cases wc with
    | nil => simp at h1
    | cons w wc =>
      cases q with
      | nil => simp at h2
      | cons x q =>
        have e1 : (pre ++ (w :: wc ++ post)).set pre.length x = (pre ++ [x]) ++ (wc ++ post) := by
          simp [List.set_append_right]
        show zput ((pre ++ (w :: wc ++ post)).set pre.length x) (List.range' (pre.length + 1) k) q = _
        rw [e1, show pre.length + 1 = (pre ++ [x]).length by simp, ih (pre ++ [x]) wc post q (by simpa using h1) (by simpa using h2)]
        simp
theorem zrun {ws wc q ws' : va_W} (n k : Nat) (h : ws = ws.take n ++ (wc ++ ws.drop (n + k))) (hn : (ws.take n).length = n) (hk : wc.length = k) (hq : q.length = k) (h' : ws' = ws.take n ++ (q ++ ws.drop (n + k))) : zput ws (List.range' n k) q = ws' := by
  rw [h']
  have e := zput_run k (ws.take n) wc (ws.drop (n + k)) q hk hq
  rw [← h, hn] at e
  exact e
theorem ztwo {ws ws1 ws2 q1 q2 : va_W} {is1 is2 : List Nat} (hl : is1.length = q1.length) (h1 : zput ws is1 q1 = ws1) (h2 : zput ws1 is2 q2 = ws2) : zput ws (is1 ++ is2) (q1 ++ q2) = ws2 := by
  rw [zput_app is1 is2 q1 q2 ws hl, h1, h2]
section ZZ
variable {p : Program} {l : Launch} {e : Env} {R : Room} {s : State} {m : MethodId} {args : Array Value} {below : List Frame} {meth : Method} {c : Code} {H : Heap} {locs : List Loc} {cells slots : Nat} {Q : State → Prop}
variable {pc : Nat} {ls : Array Slot} {rest st0 : List Value} {a : Array Value} {A0 : Nat → Prop} {H0 : Heap} {g : zG} {ws wc w1 ws' : va_W}
theorem zk_iZ {r : Int32} (hr : va_Run p l e R s m args below meth c H locs cells slots 0 0 (F0 m pc ls st0) rest (va_Qi (fun (x : Int32) (_ : Unit) => x = r) (fun _ => zEnd g (va_A wc H.size) w1) (va_A wc H.size) a) (va_A wc H.size)) (hP : va_P g.1 vwCl ws H) (hD : va_D A0 ws) (hS : va_S A0 H0 H locs) (hA : ∀ q, H0.size ≤ q → A0 q) (isC : List Nat) (hC : isC.map (fun i => ws[i]?) = wc.map some) (hs : w1.map Prod.fst = wc.map Prod.fst) (hz : zput ws isC w1 = ws')
    (kk : ∀ (H1 : Heap) (locs1 : List Loc), va_P g.1 vwCl ws' H1 → va_D A0 ws' → va_S A0 H0 H1 locs1 → W p l e R s m args below meth c H1 locs1 cells slots Q (F0 m (pc + 3) ls (.int r :: rest))) : W p l e R s m args below meth c H locs cells slots Q (F0 m pc ls st0) :=
  zk_i hr hP hD hS hA isC hC hs (fun H1 locs1 h1 h2 h3 => by rw [hz] at h1 h2; exact kk H1 locs1 h1 h2 h3)
theorem zk_vZ (hr : va_Run p l e R s m args below meth c H locs cells slots 0 0 (F0 m pc ls st0) rest (va_Qv (fun (_ : Unit) => True) (fun _ => zEnd g (va_A wc H.size) w1) (va_A wc H.size) a) (va_A wc H.size)) (hP : va_P g.1 vwCl ws H) (hD : va_D A0 ws) (hS : va_S A0 H0 H locs) (hA : ∀ q, H0.size ≤ q → A0 q) (isC : List Nat) (hC : isC.map (fun i => ws[i]?) = wc.map some) (hs : w1.map Prod.fst = wc.map Prod.fst) (hz : zput ws isC w1 = ws')
    (kk : ∀ (H1 : Heap) (locs1 : List Loc), va_P g.1 vwCl ws' H1 → va_D A0 ws' → va_S A0 H0 H1 locs1 → W p l e R s m args below meth c H1 locs1 cells slots Q (F0 m (pc + 3) ls rest)) : W p l e R s m args below meth c H locs cells slots Q (F0 m pc ls st0) :=
  zk_v hr hP hD hS hA isC hC hs (fun H1 locs1 h1 h2 h3 => by rw [hz] at h1 h2; exact kk H1 locs1 h1 h2 h3)
end ZZ
