theorem CH.set0 {σ : St} {b : Nat} {h : Hs} (p : CH σ b h) {k : Nat} (v : Int32) : CH (u2 σ (b + 1) k v) b (hset h 0 k v) := by
  obtain ⟨⟨h0, h1, h2, h3, h4, h5, h6, h7⟩, g0, g1, g2, g3⟩ := p
  refine ⟨⟨?_, ?_, ?_, ?_, ?_, ?_, ?_, ?_⟩, ?_, ?_, ?_, ?_⟩
  · intro j hj
    by_cases q : j = k
    · subst q; rw [u2_same, hset_same]
    · rw [u2_slot q, hset_slot q]; exact h0 j hj
  · intro j hj; rw [u2_ne (by omega), hset_ne (by decide)]; exact h1 j hj
  · intro j hj; rw [u2_ne (by omega), hset_ne (by decide)]; exact h2 j hj
  · intro j hj; rw [u2_ne (by omega), hset_ne (by decide)]; exact h3 j hj
  · intro j hj; rw [u2_ne (by omega), hset_ne (by decide)]; exact h4 j hj
  · intro j hj; rw [u2_ne (by omega), hset_ne (by decide)]; exact h5 j hj
  · intro j hj; rw [u2_ne (by omega), hset_ne (by decide)]; exact h6 j hj
  · intro j hj; rw [u2_ne (by omega), hset_ne (by decide)]; exact h7 j hj
  · rw [u2_ne (by omega), hset_ne (by decide)]; exact g0
  · rw [u2_ne (by omega), hset_ne (by decide)]; exact g1
  · rw [u2_ne (by omega), hset_ne (by decide)]; exact g2
  · rw [u2_ne (by omega), hset_ne (by decide)]; exact g3
theorem CH.set1 {σ : St} {b : Nat} {h : Hs} (p : CH σ b h) {k : Nat} (v : Int32) : CH (u2 σ (b + 2) k v) b (hset h 1 k v) := by
  obtain ⟨⟨h0, h1, h2, h3, h4, h5, h6, h7⟩, g0, g1, g2, g3⟩ := p
  refine ⟨⟨?_, ?_, ?_, ?_, ?_, ?_, ?_, ?_⟩, ?_, ?_, ?_, ?_⟩
  · intro j hj; rw [u2_ne (by omega), hset_ne (by decide)]; exact h0 j hj
  · intro j hj
    by_cases q : j = k
    · subst q; rw [u2_same, hset_same]
    · rw [u2_slot q, hset_slot q]; exact h1 j hj
  · intro j hj; rw [u2_ne (by omega), hset_ne (by decide)]; exact h2 j hj
  · intro j hj; rw [u2_ne (by omega), hset_ne (by decide)]; exact h3 j hj
  · intro j hj; rw [u2_ne (by omega), hset_ne (by decide)]; exact h4 j hj
  · intro j hj; rw [u2_ne (by omega), hset_ne (by decide)]; exact h5 j hj
  · intro j hj; rw [u2_ne (by omega), hset_ne (by decide)]; exact h6 j hj
  · intro j hj; rw [u2_ne (by omega), hset_ne (by decide)]; exact h7 j hj
  · rw [u2_ne (by omega), hset_ne (by decide)]; exact g0
  · rw [u2_ne (by omega), hset_ne (by decide)]; exact g1
  · rw [u2_ne (by omega), hset_ne (by decide)]; exact g2
  · rw [u2_ne (by omega), hset_ne (by decide)]; exact g3
theorem CH.set2 {σ : St} {b : Nat} {h : Hs} (p : CH σ b h) {k : Nat} (v : Int32) : CH (u2 σ (b + 3) k v) b (hset h 2 k v) := by
  obtain ⟨⟨h0, h1, h2, h3, h4, h5, h6, h7⟩, g0, g1, g2, g3⟩ := p
  refine ⟨⟨?_, ?_, ?_, ?_, ?_, ?_, ?_, ?_⟩, ?_, ?_, ?_, ?_⟩
  · intro j hj; rw [u2_ne (by omega), hset_ne (by decide)]; exact h0 j hj
  · intro j hj; rw [u2_ne (by omega), hset_ne (by decide)]; exact h1 j hj
  · intro j hj
    by_cases q : j = k
    · subst q; rw [u2_same, hset_same]
    · rw [u2_slot q, hset_slot q]; exact h2 j hj
  · intro j hj; rw [u2_ne (by omega), hset_ne (by decide)]; exact h3 j hj
  · intro j hj; rw [u2_ne (by omega), hset_ne (by decide)]; exact h4 j hj
  · intro j hj; rw [u2_ne (by omega), hset_ne (by decide)]; exact h5 j hj
  · intro j hj; rw [u2_ne (by omega), hset_ne (by decide)]; exact h6 j hj
  · intro j hj; rw [u2_ne (by omega), hset_ne (by decide)]; exact h7 j hj
  · rw [u2_ne (by omega), hset_ne (by decide)]; exact g0
  · rw [u2_ne (by omega), hset_ne (by decide)]; exact g1
  · rw [u2_ne (by omega), hset_ne (by decide)]; exact g2
  · rw [u2_ne (by omega), hset_ne (by decide)]; exact g3
theorem CH.set3 {σ : St} {b : Nat} {h : Hs} (p : CH σ b h) {k : Nat} (v : Int32) : CH (u2 σ (b + 4) k v) b (hset h 3 k v) := by
  obtain ⟨⟨h0, h1, h2, h3, h4, h5, h6, h7⟩, g0, g1, g2, g3⟩ := p
  refine ⟨⟨?_, ?_, ?_, ?_, ?_, ?_, ?_, ?_⟩, ?_, ?_, ?_, ?_⟩
  · intro j hj; rw [u2_ne (by omega), hset_ne (by decide)]; exact h0 j hj
  · intro j hj; rw [u2_ne (by omega), hset_ne (by decide)]; exact h1 j hj
  · intro j hj; rw [u2_ne (by omega), hset_ne (by decide)]; exact h2 j hj
  · intro j hj
    by_cases q : j = k
    · subst q; rw [u2_same, hset_same]
    · rw [u2_slot q, hset_slot q]; exact h3 j hj
  · intro j hj; rw [u2_ne (by omega), hset_ne (by decide)]; exact h4 j hj
  · intro j hj; rw [u2_ne (by omega), hset_ne (by decide)]; exact h5 j hj
  · intro j hj; rw [u2_ne (by omega), hset_ne (by decide)]; exact h6 j hj
  · intro j hj; rw [u2_ne (by omega), hset_ne (by decide)]; exact h7 j hj
  · rw [u2_ne (by omega), hset_ne (by decide)]; exact g0
  · rw [u2_ne (by omega), hset_ne (by decide)]; exact g1
  · rw [u2_ne (by omega), hset_ne (by decide)]; exact g2
  · rw [u2_ne (by omega), hset_ne (by decide)]; exact g3
theorem CH.set4 {σ : St} {b : Nat} {h : Hs} (p : CH σ b h) {k : Nat} (v : Int32) : CH (u2 σ (b + 5) k v) b (hset h 4 k v) := by
  obtain ⟨⟨h0, h1, h2, h3, h4, h5, h6, h7⟩, g0, g1, g2, g3⟩ := p
  refine ⟨⟨?_, ?_, ?_, ?_, ?_, ?_, ?_, ?_⟩, ?_, ?_, ?_, ?_⟩
  · intro j hj; rw [u2_ne (by omega), hset_ne (by decide)]; exact h0 j hj
  · intro j hj; rw [u2_ne (by omega), hset_ne (by decide)]; exact h1 j hj
  · intro j hj; rw [u2_ne (by omega), hset_ne (by decide)]; exact h2 j hj
  · intro j hj; rw [u2_ne (by omega), hset_ne (by decide)]; exact h3 j hj
  · intro j hj
    by_cases q : j = k
    · subst q; rw [u2_same, hset_same]
    · rw [u2_slot q, hset_slot q]; exact h4 j hj
  · intro j hj; rw [u2_ne (by omega), hset_ne (by decide)]; exact h5 j hj
  · intro j hj; rw [u2_ne (by omega), hset_ne (by decide)]; exact h6 j hj
  · intro j hj; rw [u2_ne (by omega), hset_ne (by decide)]; exact h7 j hj
  · rw [u2_ne (by omega), hset_ne (by decide)]; exact g0
  · rw [u2_ne (by omega), hset_ne (by decide)]; exact g1
  · rw [u2_ne (by omega), hset_ne (by decide)]; exact g2
  · rw [u2_ne (by omega), hset_ne (by decide)]; exact g3
theorem CH.set6 {σ : St} {b : Nat} {h : Hs} (p : CH σ b h) {k : Nat} (v : Int32) : CH (u2 σ (b + 7) k v) b (hset h 6 k v) := by
  obtain ⟨⟨h0, h1, h2, h3, h4, h5, h6, h7⟩, g0, g1, g2, g3⟩ := p
  refine ⟨⟨?_, ?_, ?_, ?_, ?_, ?_, ?_, ?_⟩, ?_, ?_, ?_, ?_⟩
  · intro j hj; rw [u2_ne (by omega), hset_ne (by decide)]; exact h0 j hj
  · intro j hj; rw [u2_ne (by omega), hset_ne (by decide)]; exact h1 j hj
  · intro j hj; rw [u2_ne (by omega), hset_ne (by decide)]; exact h2 j hj
  · intro j hj; rw [u2_ne (by omega), hset_ne (by decide)]; exact h3 j hj
  · intro j hj; rw [u2_ne (by omega), hset_ne (by decide)]; exact h4 j hj
  · intro j hj; rw [u2_ne (by omega), hset_ne (by decide)]; exact h5 j hj
  · intro j hj
    by_cases q : j = k
    · subst q; rw [u2_same, hset_same]
    · rw [u2_slot q, hset_slot q]; exact h6 j hj
  · intro j hj; rw [u2_ne (by omega), hset_ne (by decide)]; exact h7 j hj
  · rw [u2_ne (by omega), hset_ne (by decide)]; exact g0
  · rw [u2_ne (by omega), hset_ne (by decide)]; exact g1
  · rw [u2_ne (by omega), hset_ne (by decide)]; exact g2
  · rw [u2_ne (by omega), hset_ne (by decide)]; exact g3
theorem MH.sw {s : St} {h : Hs} (p : MH (s 1) h) {k : Nat} (hk : k < 16) (v : Int32) : MH (u2 s 1 (9 + 2 * k) v 1) (hset h 0 k v) := by
  obtain ⟨⟨a0, a1, a2, a3⟩, b, c, d⟩ := p
  refine ⟨⟨?_, ?_, ?_, ?_⟩, fun j hj => ?_, fun j hj => ?_, fun j hj => ?_⟩
  · rw [u2_slot (by omega), hset_ne (by decide)]; exact a0
  · rw [u2_slot (by omega), hset_ne (by decide)]; exact a1
  · rw [u2_slot (by omega), hset_ne (by decide)]; exact a2
  · rw [u2_slot (by omega), hset_ne (by decide)]; exact a3
  · obtain ⟨b0, b1⟩ := b j hj
    rw [u2_slot (i := 9 + 2 * j + 1) (by omega), hset_ne (a := 1) (by decide)]
    refine ⟨?_, b1⟩
    by_cases q : j = k
    · subst q; rw [u2_same, hset_same]
    · rw [u2_slot (by omega), hset_slot q]; exact b0
  · rw [u2_slot (by omega), hset_ne (by decide)]; exact c j hj
  · rw [u2_slot (by omega), u2_slot (by omega), u2_slot (by omega), u2_slot (by omega), u2_slot (by omega), hset_ne (by decide), hset_ne (by decide), hset_ne (by decide), hset_ne (by decide), hset_ne (by decide)]; exact d j hj
theorem MH.ft {s : St} {h : Hs} (p : MH (s 1) h) {k : Nat} (hk : k < 16) (v : Int32) : MH (u2 s 1 (9 + 2 * k + 1) v 1) (hset h 1 k v) := by
  obtain ⟨⟨a0, a1, a2, a3⟩, b, c, d⟩ := p
  refine ⟨⟨?_, ?_, ?_, ?_⟩, fun j hj => ?_, fun j hj => ?_, fun j hj => ?_⟩
  · rw [u2_slot (by omega), hset_ne (by decide)]; exact a0
  · rw [u2_slot (by omega), hset_ne (by decide)]; exact a1
  · rw [u2_slot (by omega), hset_ne (by decide)]; exact a2
  · rw [u2_slot (by omega), hset_ne (by decide)]; exact a3
  · obtain ⟨b0, b1⟩ := b j hj
    rw [u2_slot (i := 9 + 2 * j) (by omega), hset_ne (a := 0) (by decide)]
    refine ⟨b0, ?_⟩
    by_cases q : j = k
    · subst q; rw [u2_same, hset_same]
    · rw [u2_slot (by omega), hset_slot q]; exact b1
  · rw [u2_slot (by omega), hset_ne (by decide)]; exact c j hj
  · rw [u2_slot (by omega), u2_slot (by omega), u2_slot (by omega), u2_slot (by omega), u2_slot (by omega), hset_ne (by decide), hset_ne (by decide), hset_ne (by decide), hset_ne (by decide), hset_ne (by decide)]; exact d j hj
theorem MH.sv {s : St} {h : Hs} (p : MH (s 1) h) {k : Nat} (hk : k < 6) (v : Int32) : MH (u2 s 1 (41 + k) v 1) (hset h 2 k v) := by
  obtain ⟨⟨a0, a1, a2, a3⟩, b, c, d⟩ := p
  refine ⟨⟨?_, ?_, ?_, ?_⟩, fun j hj => ?_, fun j hj => ?_, fun j hj => ?_⟩
  · rw [u2_slot (by omega), hset_ne (by decide)]; exact a0
  · rw [u2_slot (by omega), hset_ne (by decide)]; exact a1
  · rw [u2_slot (by omega), hset_ne (by decide)]; exact a2
  · rw [u2_slot (by omega), hset_ne (by decide)]; exact a3
  · rw [u2_slot (by omega), u2_slot (by omega), hset_ne (by decide), hset_ne (by decide)]; exact b j hj
  · by_cases q : j = k
    · subst q; rw [u2_same, hset_same]
    · rw [u2_slot (by omega), hset_slot q]; exact c j hj
  · rw [u2_slot (by omega), u2_slot (by omega), u2_slot (by omega), u2_slot (by omega), u2_slot (by omega), hset_ne (by decide), hset_ne (by decide), hset_ne (by decide), hset_ne (by decide), hset_ne (by decide)]; exact d j hj
theorem MH.kd {s : St} {h : Hs} (p : MH (s 1) h) {k : Nat} (hk : k < 8) (v : Int32) : MH (u2 s 1 (47 + 5 * k) v 1) (hset h 3 k v) := by
  obtain ⟨⟨a0, a1, a2, a3⟩, b, c, d⟩ := p
  refine ⟨⟨?_, ?_, ?_, ?_⟩, fun j hj => ?_, fun j hj => ?_, fun j hj => ?_⟩
  · rw [u2_slot (by omega), hset_ne (by decide)]; exact a0
  · rw [u2_slot (by omega), hset_ne (by decide)]; exact a1
  · rw [u2_slot (by omega), hset_ne (by decide)]; exact a2
  · rw [u2_slot (by omega), hset_ne (by decide)]; exact a3
  · rw [u2_slot (by omega), u2_slot (by omega), hset_ne (by decide), hset_ne (by decide)]; exact b j hj
  · rw [u2_slot (by omega), hset_ne (by decide)]; exact c j hj
  · obtain ⟨d0, d1, d2, d3, d4⟩ := d j hj
    rw [u2_slot (i := 47 + 5 * j + 1) (by omega), u2_slot (i := 47 + 5 * j + 2) (by omega), u2_slot (i := 47 + 5 * j + 3) (by omega), u2_slot (i := 47 + 5 * j + 4) (by omega), hset_ne (a := 4) (by decide), hset_ne (a := 5) (by decide), hset_ne (a := 6) (by decide), hset_ne (a := 7) (by decide)]
    refine ⟨?_, d1, d2, d3, d4⟩
    by_cases q : j = k
    · subst q; rw [u2_same, hset_same]
    · rw [u2_slot (by omega), hset_slot q]; exact d0
theorem MH.mm {s : St} {h : Hs} (p : MH (s 1) h) {k : Nat} (hk : k < 8) (v : Int32) : MH (u2 s 1 (47 + 5 * k + 1) v 1) (hset h 4 k v) := by
  obtain ⟨⟨a0, a1, a2, a3⟩, b, c, d⟩ := p
  refine ⟨⟨?_, ?_, ?_, ?_⟩, fun j hj => ?_, fun j hj => ?_, fun j hj => ?_⟩
  · rw [u2_slot (by omega), hset_ne (by decide)]; exact a0
  · rw [u2_slot (by omega), hset_ne (by decide)]; exact a1
  · rw [u2_slot (by omega), hset_ne (by decide)]; exact a2
  · rw [u2_slot (by omega), hset_ne (by decide)]; exact a3
  · rw [u2_slot (by omega), u2_slot (by omega), hset_ne (by decide), hset_ne (by decide)]; exact b j hj
  · rw [u2_slot (by omega), hset_ne (by decide)]; exact c j hj
  · obtain ⟨d0, d1, d2, d3, d4⟩ := d j hj
    rw [u2_slot (i := 47 + 5 * j) (by omega), u2_slot (i := 47 + 5 * j + 2) (by omega), u2_slot (i := 47 + 5 * j + 3) (by omega), u2_slot (i := 47 + 5 * j + 4) (by omega), hset_ne (a := 3) (by decide), hset_ne (a := 5) (by decide), hset_ne (a := 6) (by decide), hset_ne (a := 7) (by decide)]
    refine ⟨d0, ?_, d2, d3, d4⟩
    by_cases q : j = k
    · subst q; rw [u2_same, hset_same]
    · rw [u2_slot (by omega), hset_slot q]; exact d1
theorem MH.lo {s : St} {h : Hs} (p : MH (s 1) h) {k : Nat} (hk : k < 8) (v : Int32) : MH (u2 s 1 (47 + 5 * k + 3) v 1) (hset h 6 k v) := by
  obtain ⟨⟨a0, a1, a2, a3⟩, b, c, d⟩ := p
  refine ⟨⟨?_, ?_, ?_, ?_⟩, fun j hj => ?_, fun j hj => ?_, fun j hj => ?_⟩
  · rw [u2_slot (by omega), hset_ne (by decide)]; exact a0
  · rw [u2_slot (by omega), hset_ne (by decide)]; exact a1
  · rw [u2_slot (by omega), hset_ne (by decide)]; exact a2
  · rw [u2_slot (by omega), hset_ne (by decide)]; exact a3
  · rw [u2_slot (by omega), u2_slot (by omega), hset_ne (by decide), hset_ne (by decide)]; exact b j hj
  · rw [u2_slot (by omega), hset_ne (by decide)]; exact c j hj
  · obtain ⟨d0, d1, d2, d3, d4⟩ := d j hj
    rw [u2_slot (i := 47 + 5 * j) (by omega), u2_slot (i := 47 + 5 * j + 1) (by omega), u2_slot (i := 47 + 5 * j + 2) (by omega), u2_slot (i := 47 + 5 * j + 4) (by omega), hset_ne (a := 3) (by decide), hset_ne (a := 4) (by decide), hset_ne (a := 5) (by decide), hset_ne (a := 7) (by decide)]
    refine ⟨d0, d1, d2, ?_, d4⟩
    by_cases q : j = k
    · subst q; rw [u2_same, hset_same]
    · rw [u2_slot (by omega), hset_slot q]; exact d3
theorem MH.dn {s : St} {h : Hs} (p : MH (s 1) h) (v : Int32) : MH (u2 s 1 (2) v 1) (hset h 8 3 v) := by
  obtain ⟨⟨a0, a1, a2, a3⟩, b, c, d⟩ := p
  refine ⟨⟨?_, ?_, ?_, ?_⟩, fun j hj => ?_, fun j hj => ?_, fun j hj => ?_⟩
  · rw [u2_slot (by omega), hset_slot (by decide)]; exact a0
  · rw [u2_same, hset_same]
  · rw [u2_slot (by omega), hset_slot (by decide)]; exact a2
  · rw [u2_slot (by omega), hset_slot (by decide)]; exact a3
  · rw [u2_slot (by omega), u2_slot (by omega), hset_ne (by decide), hset_ne (by decide)]; exact b j hj
  · rw [u2_slot (by omega), hset_ne (by decide)]; exact c j hj
  · rw [u2_slot (by omega), u2_slot (by omega), u2_slot (by omega), u2_slot (by omega), u2_slot (by omega), hset_ne (by decide), hset_ne (by decide), hset_ne (by decide), hset_ne (by decide), hset_ne (by decide)]; exact d j hj
theorem MH.rm {s : St} {h : Hs} (p : MH (s 1) h) (v : Int32) : MH (u2 s 1 (3) v 1) (hset h 8 0 v) := by
  obtain ⟨⟨a0, a1, a2, a3⟩, b, c, d⟩ := p
  refine ⟨⟨?_, ?_, ?_, ?_⟩, fun j hj => ?_, fun j hj => ?_, fun j hj => ?_⟩
  · rw [u2_slot (by omega), hset_slot (by decide)]; exact a0
  · rw [u2_slot (by omega), hset_slot (by decide)]; exact a1
  · rw [u2_same, hset_same]
  · rw [u2_slot (by omega), hset_slot (by decide)]; exact a3
  · rw [u2_slot (by omega), u2_slot (by omega), hset_ne (by decide), hset_ne (by decide)]; exact b j hj
  · rw [u2_slot (by omega), hset_ne (by decide)]; exact c j hj
  · rw [u2_slot (by omega), u2_slot (by omega), u2_slot (by omega), u2_slot (by omega), u2_slot (by omega), hset_ne (by decide), hset_ne (by decide), hset_ne (by decide), hset_ne (by decide), hset_ne (by decide)]; exact d j hj
theorem HB.set0 {D : Int} {dn : Nat} {h : Hs} (q : HB D dn h) {k : Nat} {v : Int32} (hv : bt 0 9 v) : HB D dn (hset h 0 k v) := by
  refine ⟨q.1, ?_, ?_, ?_, ?_, ?_, ?_, ?_, ?_, ?_, ?_, ?_, ?_⟩
  · rw [hset_ne (by decide)]; exact q.d3
  · intro j hj
    by_cases z : j = k
    · subst z; rw [hset_same]; exact hv
    · rw [hset_slot z]; exact q.sw hj
  · intro j hj; rw [hset_ne (by decide)]; exact q.ft hj
  · intro j hj; rw [hset_ne (by decide)]; exact q.sv hj
  · intro j hj; rw [hset_ne (by decide)]; exact q.kd hj
  · intro j hj; rw [hset_ne (by decide)]; exact q.mm hj
  · intro j hj; rw [hset_ne (by decide)]; exact q.gr hj
  · intro j hj; rw [hset_ne (by decide)]; exact q.lo hj
  · intro j hj; rw [hset_ne (by decide)]; exact q.kn hj
  · rw [hset_ne (by decide)]; exact q.rm
  · rw [hset_ne (by decide)]; exact q.pg
  · rw [hset_ne (by decide)]; exact q.dy
theorem HB.set1 {D : Int} {dn : Nat} {h : Hs} (q : HB D dn h) {k : Nat} {v : Int32} (hv : bt 0 9 v) : HB D dn (hset h 1 k v) := by
  refine ⟨q.1, ?_, ?_, ?_, ?_, ?_, ?_, ?_, ?_, ?_, ?_, ?_, ?_⟩
  · rw [hset_ne (by decide)]; exact q.d3
  · intro j hj; rw [hset_ne (by decide)]; exact q.sw hj
  · intro j hj
    by_cases z : j = k
    · subst z; rw [hset_same]; exact hv
    · rw [hset_slot z]; exact q.ft hj
  · intro j hj; rw [hset_ne (by decide)]; exact q.sv hj
  · intro j hj; rw [hset_ne (by decide)]; exact q.kd hj
  · intro j hj; rw [hset_ne (by decide)]; exact q.mm hj
  · intro j hj; rw [hset_ne (by decide)]; exact q.gr hj
  · intro j hj; rw [hset_ne (by decide)]; exact q.lo hj
  · intro j hj; rw [hset_ne (by decide)]; exact q.kn hj
  · rw [hset_ne (by decide)]; exact q.rm
  · rw [hset_ne (by decide)]; exact q.pg
  · rw [hset_ne (by decide)]; exact q.dy
theorem HB.set2 {D : Int} {dn : Nat} {h : Hs} (q : HB D dn h) {k : Nat} {v : Int32} (hv : bt 0 15 v) : HB D dn (hset h 2 k v) := by
  refine ⟨q.1, ?_, ?_, ?_, ?_, ?_, ?_, ?_, ?_, ?_, ?_, ?_, ?_⟩
  · rw [hset_ne (by decide)]; exact q.d3
  · intro j hj; rw [hset_ne (by decide)]; exact q.sw hj
  · intro j hj; rw [hset_ne (by decide)]; exact q.ft hj
  · intro j hj
    by_cases z : j = k
    · subst z; rw [hset_same]; exact hv
    · rw [hset_slot z]; exact q.sv hj
  · intro j hj; rw [hset_ne (by decide)]; exact q.kd hj
  · intro j hj; rw [hset_ne (by decide)]; exact q.mm hj
  · intro j hj; rw [hset_ne (by decide)]; exact q.gr hj
  · intro j hj; rw [hset_ne (by decide)]; exact q.lo hj
  · intro j hj; rw [hset_ne (by decide)]; exact q.kn hj
  · rw [hset_ne (by decide)]; exact q.rm
  · rw [hset_ne (by decide)]; exact q.pg
  · rw [hset_ne (by decide)]; exact q.dy
theorem HB.set3 {D : Int} {dn : Nat} {h : Hs} (q : HB D dn h) {k : Nat} {v : Int32} (hv : bt 0 6 v) : HB D dn (hset h 3 k v) := by
  refine ⟨q.1, ?_, ?_, ?_, ?_, ?_, ?_, ?_, ?_, ?_, ?_, ?_, ?_⟩
  · rw [hset_ne (by decide)]; exact q.d3
  · intro j hj; rw [hset_ne (by decide)]; exact q.sw hj
  · intro j hj; rw [hset_ne (by decide)]; exact q.ft hj
  · intro j hj; rw [hset_ne (by decide)]; exact q.sv hj
  · intro j hj
    by_cases z : j = k
    · subst z; rw [hset_same]; exact hv
    · rw [hset_slot z]; exact q.kd hj
  · intro j hj; rw [hset_ne (by decide)]; exact q.mm hj
  · intro j hj; rw [hset_ne (by decide)]; exact q.gr hj
  · intro j hj; rw [hset_ne (by decide)]; exact q.lo hj
  · intro j hj; rw [hset_ne (by decide)]; exact q.kn hj
  · rw [hset_ne (by decide)]; exact q.rm
  · rw [hset_ne (by decide)]; exact q.pg
  · rw [hset_ne (by decide)]; exact q.dy
theorem HB.set4 {D : Int} {dn : Nat} {h : Hs} (q : HB D dn h) {k : Nat} {v : Int32} (hv : bt 0 9 v) : HB D dn (hset h 4 k v) := by
  refine ⟨q.1, ?_, ?_, ?_, ?_, ?_, ?_, ?_, ?_, ?_, ?_, ?_, ?_⟩
  · rw [hset_ne (by decide)]; exact q.d3
  · intro j hj; rw [hset_ne (by decide)]; exact q.sw hj
  · intro j hj; rw [hset_ne (by decide)]; exact q.ft hj
  · intro j hj; rw [hset_ne (by decide)]; exact q.sv hj
  · intro j hj; rw [hset_ne (by decide)]; exact q.kd hj
  · intro j hj
    by_cases z : j = k
    · subst z; rw [hset_same]; exact hv
    · rw [hset_slot z]; exact q.mm hj
  · intro j hj; rw [hset_ne (by decide)]; exact q.gr hj
  · intro j hj; rw [hset_ne (by decide)]; exact q.lo hj
  · intro j hj; rw [hset_ne (by decide)]; exact q.kn hj
  · rw [hset_ne (by decide)]; exact q.rm
  · rw [hset_ne (by decide)]; exact q.pg
  · rw [hset_ne (by decide)]; exact q.dy
theorem HB.set5 {D : Int} {dn : Nat} {h : Hs} (q : HB D dn h) {k : Nat} {v : Int32} (hv : bt 0 9 v) : HB D dn (hset h 5 k v) := by
  refine ⟨q.1, ?_, ?_, ?_, ?_, ?_, ?_, ?_, ?_, ?_, ?_, ?_, ?_⟩
  · rw [hset_ne (by decide)]; exact q.d3
  · intro j hj; rw [hset_ne (by decide)]; exact q.sw hj
  · intro j hj; rw [hset_ne (by decide)]; exact q.ft hj
  · intro j hj; rw [hset_ne (by decide)]; exact q.sv hj
  · intro j hj; rw [hset_ne (by decide)]; exact q.kd hj
  · intro j hj; rw [hset_ne (by decide)]; exact q.mm hj
  · intro j hj
    by_cases z : j = k
    · subst z; rw [hset_same]; exact hv
    · rw [hset_slot z]; exact q.gr hj
  · intro j hj; rw [hset_ne (by decide)]; exact q.lo hj
  · intro j hj; rw [hset_ne (by decide)]; exact q.kn hj
  · rw [hset_ne (by decide)]; exact q.rm
  · rw [hset_ne (by decide)]; exact q.pg
  · rw [hset_ne (by decide)]; exact q.dy
theorem HB.set6 {D : Int} {dn : Nat} {h : Hs} (q : HB D dn h) {k : Nat} {v : Int32} (hv : bt 0 7 v) : HB D dn (hset h 6 k v) := by
  refine ⟨q.1, ?_, ?_, ?_, ?_, ?_, ?_, ?_, ?_, ?_, ?_, ?_, ?_⟩
  · rw [hset_ne (by decide)]; exact q.d3
  · intro j hj; rw [hset_ne (by decide)]; exact q.sw hj
  · intro j hj; rw [hset_ne (by decide)]; exact q.ft hj
  · intro j hj; rw [hset_ne (by decide)]; exact q.sv hj
  · intro j hj; rw [hset_ne (by decide)]; exact q.kd hj
  · intro j hj; rw [hset_ne (by decide)]; exact q.mm hj
  · intro j hj; rw [hset_ne (by decide)]; exact q.gr hj
  · intro j hj
    by_cases z : j = k
    · subst z; rw [hset_same]; exact hv
    · rw [hset_slot z]; exact q.lo hj
  · intro j hj; rw [hset_ne (by decide)]; exact q.kn hj
  · rw [hset_ne (by decide)]; exact q.rm
  · rw [hset_ne (by decide)]; exact q.pg
  · rw [hset_ne (by decide)]; exact q.dy
theorem HB.set7 {D : Int} {dn : Nat} {h : Hs} (q : HB D dn h) {k : Nat} {v : Int32} (hv : bt 0 99 v) : HB D dn (hset h 7 k v) := by
  refine ⟨q.1, ?_, ?_, ?_, ?_, ?_, ?_, ?_, ?_, ?_, ?_, ?_, ?_⟩
  · rw [hset_ne (by decide)]; exact q.d3
  · intro j hj; rw [hset_ne (by decide)]; exact q.sw hj
  · intro j hj; rw [hset_ne (by decide)]; exact q.ft hj
  · intro j hj; rw [hset_ne (by decide)]; exact q.sv hj
  · intro j hj; rw [hset_ne (by decide)]; exact q.kd hj
  · intro j hj; rw [hset_ne (by decide)]; exact q.mm hj
  · intro j hj; rw [hset_ne (by decide)]; exact q.gr hj
  · intro j hj; rw [hset_ne (by decide)]; exact q.lo hj
  · intro j hj
    by_cases z : j = k
    · subst z; rw [hset_same]; exact hv
    · rw [hset_slot z]; exact q.kn hj
  · rw [hset_ne (by decide)]; exact q.rm
  · rw [hset_ne (by decide)]; exact q.pg
  · rw [hset_ne (by decide)]; exact q.dy
theorem HB.set80 {D : Int} {dn : Nat} {h : Hs} (q : HB D dn h) {v : Int32} (hv : bt 0 40 v) : HB D dn (hset h 8 0 v) := by
  refine ⟨q.1, ?_, ?_, ?_, ?_, ?_, ?_, ?_, ?_, ?_, ?_, ?_, ?_⟩
  · rw [hset_slot (by decide)]; exact q.d3
  · intro j hj; rw [hset_ne (by decide)]; exact q.sw hj
  · intro j hj; rw [hset_ne (by decide)]; exact q.ft hj
  · intro j hj; rw [hset_ne (by decide)]; exact q.sv hj
  · intro j hj; rw [hset_ne (by decide)]; exact q.kd hj
  · intro j hj; rw [hset_ne (by decide)]; exact q.mm hj
  · intro j hj; rw [hset_ne (by decide)]; exact q.gr hj
  · intro j hj; rw [hset_ne (by decide)]; exact q.lo hj
  · intro j hj; rw [hset_ne (by decide)]; exact q.kn hj
  · rw [hset_same]; exact hv
  · rw [hset_slot (by decide)]; exact q.pg
  · rw [hset_slot (by decide)]; exact q.dy
theorem HB.set81 {D : Int} {dn : Nat} {h : Hs} (q : HB D dn h) {v : Int32} (hv : bt 0 99999 v) : HB D dn (hset h 8 1 v) := by
  refine ⟨q.1, ?_, ?_, ?_, ?_, ?_, ?_, ?_, ?_, ?_, ?_, ?_, ?_⟩
  · rw [hset_slot (by decide)]; exact q.d3
  · intro j hj; rw [hset_ne (by decide)]; exact q.sw hj
  · intro j hj; rw [hset_ne (by decide)]; exact q.ft hj
  · intro j hj; rw [hset_ne (by decide)]; exact q.sv hj
  · intro j hj; rw [hset_ne (by decide)]; exact q.kd hj
  · intro j hj; rw [hset_ne (by decide)]; exact q.mm hj
  · intro j hj; rw [hset_ne (by decide)]; exact q.gr hj
  · intro j hj; rw [hset_ne (by decide)]; exact q.lo hj
  · intro j hj; rw [hset_ne (by decide)]; exact q.kn hj
  · rw [hset_slot (by decide)]; exact q.rm
  · rw [hset_same]; exact hv
  · rw [hset_slot (by decide)]; exact q.dy
theorem HB.set82 {D : Int} {dn : Nat} {h : Hs} (q : HB D dn h) {v : Int32} (hv : bt 0 D v) : HB D dn (hset h 8 2 v) := by
  refine ⟨q.1, ?_, ?_, ?_, ?_, ?_, ?_, ?_, ?_, ?_, ?_, ?_, ?_⟩
  · rw [hset_slot (by decide)]; exact q.d3
  · intro j hj; rw [hset_ne (by decide)]; exact q.sw hj
  · intro j hj; rw [hset_ne (by decide)]; exact q.ft hj
  · intro j hj; rw [hset_ne (by decide)]; exact q.sv hj
  · intro j hj; rw [hset_ne (by decide)]; exact q.kd hj
  · intro j hj; rw [hset_ne (by decide)]; exact q.mm hj
  · intro j hj; rw [hset_ne (by decide)]; exact q.gr hj
  · intro j hj; rw [hset_ne (by decide)]; exact q.lo hj
  · intro j hj; rw [hset_ne (by decide)]; exact q.kn hj
  · rw [hset_slot (by decide)]; exact q.rm
  · rw [hset_slot (by decide)]; exact q.pg
  · rw [hset_same]; exact hv
theorem HB.set83 {D : Int} {dn : Nat} {h : Hs} (q : HB D dn h) {dn' : Nat} (hd : dn' ≤ 8) : HB D dn' (hset h 8 3 (nI dn')) := by
  refine ⟨hd, ?_, ?_, ?_, ?_, ?_, ?_, ?_, ?_, ?_, ?_, ?_, ?_⟩
  · rw [hset_same]
  · intro j hj; rw [hset_ne (by decide)]; exact q.sw hj
  · intro j hj; rw [hset_ne (by decide)]; exact q.ft hj
  · intro j hj; rw [hset_ne (by decide)]; exact q.sv hj
  · intro j hj; rw [hset_ne (by decide)]; exact q.kd hj
  · intro j hj; rw [hset_ne (by decide)]; exact q.mm hj
  · intro j hj; rw [hset_ne (by decide)]; exact q.gr hj
  · intro j hj; rw [hset_ne (by decide)]; exact q.lo hj
  · intro j hj; rw [hset_ne (by decide)]; exact q.kn hj
  · rw [hset_slot (by decide)]; exact q.rm
  · rw [hset_slot (by decide)]; exact q.pg
  · rw [hset_slot (by decide)]; exact q.dy
/-! the relation between the class' numbers and the reference's -/
def RN (σ τ : St) (h : Hs) (T : Tx) (dn : Nat) : Prop := CH σ 2 h ∧ MH (τ 1) h ∧ HB 9999 dn h ∧ TB T ∧ CLC σ T ∧ MLC τ T ∧ bt 0 50 (σ 16 1) ∧ bt 0 50 (σ 18 1)
/-- a row of numbers on both sides: its size, and what it holds up to it -/
def RR (most : Nat) (p q : Nat → Int32) (x : Int32) (f : Nat → Int32) : Prop := ∃ n, n ≤ most ∧ p 1 = nI n ∧ x = nI n ∧ ∀ i, i < n → q i = f i
def RT (σ τ : St) : Prop := RR 50 (σ 12) (σ 13) (τ 1 5) (fun i => τ 1 (87 + i)) ∧ ∀ i, i < (τ 1 5).toNatClampNeg → bt 0 255 (τ 1 (87 + i))
def RW (σ τ : St) : Prop := RR 20 (σ 14) (σ 15) (τ 1 6) (fun i => τ 1 (137 + i))
def RKK (σ τ : St) : Prop := ∃ (h : Hs) (T : Tx) (dn : Nat), CH σ 21 h ∧ MH (τ 2) h ∧ HB 9999 dn h ∧ TB T ∧ CLg (σ 35) (σ 36) (σ 37) (σ 38) T ∧ MLg (τ 2) T ∧ bt 0 50 (σ 35 1) ∧ bt 0 50 (σ 37 1) ∧ σ 20 5 = τ 2 1 ∧ (RR 50 (σ 31) (σ 32) (τ 2 5) (fun i => τ 2 (87 + i)) ∧ ∀ i, i < (τ 2 5).toNatClampNeg → bt 0 255 (τ 2 (87 + i))) ∧ RR 20 (σ 33) (σ 34) (τ 2 6) (fun i => τ 2 (137 + i))
def RK (σ τ : St) (m : Nat) : Prop := ∃ n, n ≤ m ∧ σ 0 10 = nI n ∧ τ 0 5 = nI n ∧ τ 0 4 = (if n = 0 then 0 else 1) ∧ (n ≠ 0 → RKK σ τ)
def RD (σ τ : St) : Prop := ∀ k, k < 6 → σ 67 k = τ 5 k
/-- a number of a sheet: the class keeps its lowest bits, the reference the number with its sign -/
def SR (bits x y : Int32) : Prop := if bits = 8 then x = y &&& 255 ∧ y = i8 y else if bits = 16 then x = y &&& 65535 ∧ y = i16 y else x = y
def RS (σ τ : St) : Prop := ∀ i, i < 4 → ∃ n, n ≤ 40 ∧ σ (59 + 2 * i) 1 = nI n ∧ τ 8 i = nI n ∧ σ (59 + 2 * i) 2 = τ 7 i ∧ (τ 7 i = 0 ∨ τ 7 i = 8 ∨ τ 7 i = 16 ∨ τ 7 i = 32) ∧ ∀ j, j < 40 → SR (τ 7 i) (σ (60 + 2 * i) j) (τ 9 (40 * i + j))
def RV (σ τ : St) : Prop := RR 40 (σ 56) (σ 57) (τ 0 24) (τ 13)
def Rel (σ τ : St) (m : Nat) : Prop := ∃ (h : Hs) (T : Tx) (dn : Nat), RN σ τ h T dn ∧ σ 1 5 = τ 1 1 ∧ RT σ τ ∧ RW σ τ ∧ RK σ τ m ∧ RD σ τ ∧ RS σ τ ∧ RV σ τ
/-- what an act on the house, or a thought, may change -/
def FC (σ σ' : St) : Prop := ∀ k, ¬ (2 ≤ k ∧ k ≤ 11) → ¬ (39 ≤ k ∧ k ≤ 48) → k ≠ 50 → k ≠ 51 → σ' k = σ k
def FM (τ τ' : St) : Prop := (∀ k, k ≠ 0 → k ≠ 1 → k ≠ 3 → k ≠ 6 → τ' k = τ k) ∧ (∀ j, j = 1 ∨ j = 5 ∨ j = 6 ∨ j = 7 ∨ j = 8 ∨ (87 ≤ j ∧ j < 257) → τ' 1 j = τ 1 j) ∧ ∀ j, j < 7 ∨ (14 < j ∧ j ≠ 16) → τ' 0 j = τ 0 j
theorem FC.rf (σ : St) : FC σ σ := fun _ _ _ _ _ => rfl
theorem FC.tr {a b c : St} (p : FC a b) (q : FC b c) : FC a c := fun k h1 h2 h3 h4 => (q k h1 h2 h3 h4).trans (p k h1 h2 h3 h4)
theorem FM.rf (τ : St) : FM τ τ := ⟨fun _ _ _ _ _ => rfl, fun _ _ => rfl, fun _ _ => rfl⟩
theorem FM.tr {a b c : St} (p : FM a b) (q : FM b c) : FM a c := ⟨fun k h1 h2 h3 h4 => (q.1 k h1 h2 h3 h4).trans (p.1 k h1 h2 h3 h4), fun j h => (q.2.1 j h).trans (p.2.1 j h), fun j h => (q.2.2 j h).trans (p.2.2 j h)⟩
theorem FC.u {σ : St} {k j : Nat} (hk : (2 ≤ k ∧ k ≤ 11) ∨ (39 ≤ k ∧ k ≤ 48) ∨ k = 50 ∨ k = 51) (v : Int32) : FC σ (u2 σ k j v) := fun i h1 h2 h3 h4 => u2_ne (by omega)
theorem FrD.M {s t : St} (p : FrD s t) : FM s t := ⟨fun k h1 h2 _ h4 => p.1 k h1 h2 h4, fun j h => p.2.1 j (by omega), p.2.2⟩
theorem FrB.C2 {s t : St} (p : FrB 2 s t) : FC s t := fun k h1 h2 h3 h4 => p k h3 h4 (by omega) (by omega) (by omega) (by omega)
theorem FrB.C39 {s t : St} (p : FrB 39 s t) : FC s t := fun k h1 h2 h3 h4 => p k h3 h4 (by omega) (by omega) (by omega) (by omega)
theorem Fr.C {s t : St} (p : Fr s t) : FC s t := fun k _ _ h3 h4 => p k h3 h4
theorem Rel.go {σ τ σ' τ' : St} {m : Nat} {h h' : Hs} {T : Tx} {dn dn' : Nat} (n0 : RN σ τ h T dn) (r : σ 1 5 = τ 1 1 ∧ RT σ τ ∧ RW σ τ ∧ RK σ τ m ∧ RD σ τ ∧ RS σ τ ∧ RV σ τ) (fc : FC σ σ') (fm : FM τ τ') (hc : CH σ' 2 h') (hm : MH (τ' 1) h') (hb : HB 9999 dn' h') (cc : CLC σ' T) (mc : MLC τ' T) : Rel σ' τ' m := by
  obtain ⟨z, rt, rw', rk, rd, rs, rv⟩ := r
  have c : ∀ k, ¬ (2 ≤ k ∧ k ≤ 11) ∧ ¬ (39 ≤ k ∧ k ≤ 48) ∧ k ≠ 50 ∧ k ≠ 51 → σ' k = σ k := fun k q => fc k q.1 q.2.1 q.2.2.1 q.2.2.2
  refine ⟨h', T, dn', ⟨hc, hm, hb, n0.2.2.2.1, cc, mc, ?_, ?_⟩, ?_, ?_, ?_, ?_, ?_, ?_, ?_⟩
  · rw [c 16 (by decide)]; exact n0.2.2.2.2.2.2.1
  · rw [c 18 (by decide)]; exact n0.2.2.2.2.2.2.2
  · rw [c 1 (by decide), fm.2.1 1 (by omega)]; exact z
  · obtain ⟨⟨n, h1, h2, h3, h4⟩, h5⟩ := rt
    refine ⟨⟨n, h1, by rw [c 12 (by decide)]; exact h2, by rw [fm.2.1 5 (by omega)]; exact h3, fun i hi => ?_⟩, fun i hi => ?_⟩
    · show σ' 13 i = τ' 1 (87 + i)
      rw [c 13 (by decide), fm.2.1 (87 + i) (by omega)]; exact h4 i hi
    · rw [fm.2.1 5 (by omega)] at hi
      have hi2 := hi
      rw [h3, nI_clamp (by omega)] at hi2
      rw [fm.2.1 (87 + i) (by omega)]; exact h5 i hi
  · obtain ⟨n, h1, h2, h3, h4⟩ := rw'
    refine ⟨n, h1, by rw [c 14 (by decide)]; exact h2, by rw [fm.2.1 6 (by omega)]; exact h3, fun i hi => ?_⟩
    show σ' 15 i = τ' 1 (137 + i)
    rw [c 15 (by decide), fm.2.1 (137 + i) (by omega)]; exact h4 i hi
  · obtain ⟨n, h1, h2, h3, h4, h5⟩ := rk
    refine ⟨n, h1, by rw [c 0 (by decide)]; exact h2, by rw [fm.2.2 5 (by omega)]; exact h3, by rw [fm.2.2 4 (by omega)]; exact h4, fun hn => ?_⟩
    have k := h5 hn
    unfold RKK CH at k ⊢
    rw [fm.1 2 (by decide) (by decide) (by decide) (by decide)]
    simp only [c (21 + 1) (by decide), c (21 + 2) (by decide), c (21 + 3) (by decide), c (21 + 4) (by decide), c (21 + 5) (by decide), c (21 + 6) (by decide), c (21 + 7) (by decide), c (21 + 8) (by decide), c 21 (by decide), c 35 (by decide), c 36 (by decide), c 37 (by decide), c 38 (by decide), c 20 (by decide), c 31 (by decide), c 32 (by decide), c 33 (by decide), c 34 (by decide)]
    exact k
  · intro k hk
    rw [c 67 (by decide), fm.1 5 (by decide) (by decide) (by decide) (by decide)]; exact rd k hk
  · intro i hi
    obtain ⟨n, q⟩ := rs i hi
    rw [c (59 + 2 * i) (by omega), c (60 + 2 * i) (by omega), fm.1 7 (by decide) (by decide) (by decide) (by decide), fm.1 8 (by decide) (by decide) (by decide) (by decide), fm.1 9 (by decide) (by decide) (by decide) (by decide)]
    exact ⟨n, q⟩
  · unfold RV
    rw [c 56 (by decide), c 57 (by decide), fm.2.2 24 (by omega), fm.1 13 (by decide) (by decide) (by decide) (by decide)]; exact rv
/-- an act that is refused -/
theorem Rel.err {σ τ : St} {m : Nat} (r : Rel σ τ m) {k : Nat} (hk : 1 ≤ k ∧ k ≤ 5) {x y : Int32} (hx : x = nI k) (hy : y = (-1000000000) - nI k) : ∃ σ' τ', fX8_error x σ = some (y, σ') ∧ fX9_errs y τ = some (y, τ') ∧ Rel σ' τ' m := by
  subst hx
  subst hy
  obtain ⟨h, T, dn, ⟨a1, a2, a3, a4, a5, a6, a7, a8⟩, z, rt, rw', rk, rd, rs, rv⟩ := r
  refine ⟨u2 σ 67 k (σ 67 k + 1), u2 τ 5 k (τ 5 k + 1), ?_, ?_, h, T, dn, ⟨?_, ?_, a3, a4, ?_, ?_, ?_, ?_⟩, ?_, ?_, ?_, ?_, ?_, ?_, ?_⟩
  · unfold fX8_error
    rw [ald_i (by omega) (by decide), bd1_s, ast_i (by omega) (by decide), bd1_s]
  · unfold fX9_errs
    have e : (-1000000000 : Int32) - ((-1000000000) - nI k) = nI k := by
      rcases (show k = 1 ∨ k = 2 ∨ k = 3 ∨ k = 4 ∨ k = 5 by omega) with rfl | rfl | rfl | rfl | rfl <;> decide
    rw [e, ald_i (by omega) (by decide), bd1_s, ast_i (by omega) (by decide), bd1_s]
  · exact a1.fr (fun i hi => u2_ne (by omega))
  · rw [u2_ne (by decide)]; exact a2
  · exact a5.fr (u2_ne (by decide)) (u2_ne (by decide)) (u2_ne (by decide)) (u2_ne (by decide)) (u2_ne (by decide))
  · exact ⟨a6.1.fr (fun j _ => by rw [u2_ne (by decide)]), a6.2.fr (u2_ne (by decide))⟩
  · rw [u2_ne (by decide)]; exact a7
  · rw [u2_ne (by decide)]; exact a8
  · rw [u2_ne (by decide), u2_ne (by decide)]; exact z
  · unfold RT; simp only [u2_ne (show (12 : Nat) ≠ 67 by decide), u2_ne (show (13 : Nat) ≠ 67 by decide), u2_ne (show (1 : Nat) ≠ 5 by decide)]; exact rt
  · unfold RW; simp only [u2_ne (show (14 : Nat) ≠ 67 by decide), u2_ne (show (15 : Nat) ≠ 67 by decide), u2_ne (show (1 : Nat) ≠ 5 by decide)]; exact rw'
  · obtain ⟨n, h1, h2, h3, h4, h5⟩ := rk
    refine ⟨n, h1, by rw [u2_ne (by decide)]; exact h2, by rw [u2_ne (by decide)]; exact h3, by rw [u2_ne (by decide)]; exact h4, fun hn => ?_⟩
    have k := h5 hn
    unfold RKK CH at k ⊢
    simp only [u2_ne (show (21 + 1 : Nat) ≠ 67 by decide), u2_ne (show (21 + 2 : Nat) ≠ 67 by decide), u2_ne (show (21 + 3 : Nat) ≠ 67 by decide), u2_ne (show (21 + 4 : Nat) ≠ 67 by decide), u2_ne (show (21 + 5 : Nat) ≠ 67 by decide), u2_ne (show (21 + 6 : Nat) ≠ 67 by decide), u2_ne (show (21 + 7 : Nat) ≠ 67 by decide), u2_ne (show (21 + 8 : Nat) ≠ 67 by decide), u2_ne (show (21 : Nat) ≠ 67 by decide), u2_ne (show (35 : Nat) ≠ 67 by decide), u2_ne (show (36 : Nat) ≠ 67 by decide), u2_ne (show (37 : Nat) ≠ 67 by decide), u2_ne (show (38 : Nat) ≠ 67 by decide), u2_ne (show (20 : Nat) ≠ 67 by decide), u2_ne (show (31 : Nat) ≠ 67 by decide), u2_ne (show (32 : Nat) ≠ 67 by decide), u2_ne (show (33 : Nat) ≠ 67 by decide), u2_ne (show (34 : Nat) ≠ 67 by decide), u2_ne (show (2 : Nat) ≠ 5 by decide)]
    exact k
  · intro i hi
    by_cases q : i = k
    · subst q; rw [u2_same, u2_same, rd i hi]
    · rw [u2_slot q, u2_slot q]; exact rd i hi
  · intro i hi
    obtain ⟨n, q⟩ := rs i hi
    rw [u2_ne (r := 59 + 2 * i) (by omega), u2_ne (r := 60 + 2 * i) (by omega), u2_ne (r := 7) (by decide), u2_ne (r := 8) (by decide), u2_ne (r := 9) (by decide)]
    exact ⟨n, q⟩
  · unfold RV
    rw [u2_ne (by decide), u2_ne (by decide), u2_ne (by decide), u2_ne (by decide)]; exact rv

