theorem gd_at0_X11_122 : ((vx_at0 RX11 122 "java/lang/IndexOutOfBoundsException" ["java/lang/RuntimeException", "java/lang/Exception"]).filter goodWord).all goodWord = true := by decide +kernel
theorem gd_at0_X11_129 : ((vx_at0 RX11 129 "java/lang/IllegalArgumentException" ["java/lang/RuntimeException", "java/lang/Exception"]).filter goodWord).all goodWord = true := by decide +kernel
theorem gd_at0_X11_223 : ((vx_at0 RX11 223 "java/util/NoSuchElementException" ["java/lang/RuntimeException", "java/lang/Exception"]).filter goodWord).all goodWord = true := by decide +kernel
