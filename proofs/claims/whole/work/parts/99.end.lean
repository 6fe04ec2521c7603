set_option maxHeartbeats 4000000 in
theorem zz_end : True := trivial
