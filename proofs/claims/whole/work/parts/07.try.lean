theorem try_get (M : Mem) (a k : Int) (Q : Post) : CL 165 [(2, 190), (0, a), (0, k)] NN (ov M) Q := by
  refine WP.run [] [] 40 ?_
  simp only [bk165_0, bk165_10, bk165_14, bk165_28, bk165_29, U, wpI, lget]
  done
theorem try_get2 (M : Mem) (a k : Int) (Q : Post) : CL 165 [(2, 190), (0, a), (0, k)] NN (ov M) Q := by
  refine WP.run [] [] 40 ?_
  simp [bk165_0, bk165_10, bk165_14, bk165_28, bk165_29, U, wpI, lget, kd190, kd198, kd199, ln198, ln199, ov190_12, ov190_13, ov198, ov199]
  done
